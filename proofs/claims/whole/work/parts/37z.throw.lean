theorem sd_throw {y pc e : Nat} : Snd y pc (fun _ _ M => xo_throw e M) := sorry
