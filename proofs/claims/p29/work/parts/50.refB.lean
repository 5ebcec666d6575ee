theorem cfg_newm (S : Sx) (r c : Int) : cfg S r c = newm S r c (fun _ => 1) := rfl
