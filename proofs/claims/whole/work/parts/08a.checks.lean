theorem cm_330 : (List.range 7).all (fun i => chM (i + 330)) = true := by decide +kernel
theorem cm_337 : (List.range 7).all (fun i => chM (i + 337)) = true := by decide +kernel
def chLw (i : Nat) : Bool := chI RL cL_law false (fun j => p_L_law.getD j 0) k_L_law h_L_law i
