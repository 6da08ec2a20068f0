theorem LKs_0 : ((LKs.drop 0).take 60).all ckK = true := by decide +kernel
theorem LKs_60 : ((LKs.drop 60).take 60).all ckK = true := by decide +kernel
theorem LKs_120 : ((LKs.drop 120).take 60).all ckK = true := by decide +kernel
theorem LKs_180 : ((LKs.drop 180).take 60).all ckK = true := by decide +kernel
theorem LKs_240 : ((LKs.drop 240).take 60).all ckK = true := by decide +kernel
theorem LKs_n : LKs.all (fun e => decide (e.2.2.1 ≥ 5) || decide ((parseMethodDescriptor (mY e.2.2.2.1).desc).map (fun d => d.parameters.length) = some e.2.2.2.2.1)) = true := by decide +kernel
theorem all_cut {α : Type} (p : α → Bool) (l : List α) (n : Nat) (h1 : (l.take n).all p = true) (h2 : (l.drop n).all p = true) : l.all p = true := by rw [← List.take_append_drop n l, List.all_append, h1, h2]; rfl
theorem LKs_ok : LKs.all ckK = true := (all_cut ckK LKs 60 LKs_0 (all_cut ckK (LKs.drop 60) 60 LKs_60 (by rw [List.drop_drop]; exact (all_cut ckK (LKs.drop 120) 60 LKs_120 (by rw [List.drop_drop]; exact (all_cut ckK (LKs.drop 180) 60 LKs_180 (by rw [List.drop_drop]; exact (all_cut ckK (LKs.drop 240) 60 LKs_240 (by rw [List.drop_drop]; exact (by rw [show LKs.drop 300 = [] from rfl]; rfl))))))))))
set_option maxRecDepth 100000 in
theorem LMw : LMs.map (fun e => lw_tbl[e.2.1]?) = LMs.map (fun e => some (Cond.code (mY e.1) (mB e.1) (mL e.1) (mR e.1))) := rfl
