-- names a lemma of the library's rest ahead of all, so that a round is read over the whole of it from its start
theorem z_wide : True := (fun _ => trivial) @Jvm.Stand.multianewarray2F
