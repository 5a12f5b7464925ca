-- ghosts
theorem c_gv_ND_NODES : G_ok c_sp c_CC c_PT c_g_ND_NODES := sorry
theorem c_gv_ND_NODESA : G_ok c_sp c_CC c_PT c_g_ND_NODESA := sorry
