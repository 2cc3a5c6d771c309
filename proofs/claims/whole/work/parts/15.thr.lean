/-! ===== throws ===== -/
def thNm : List String := ["java/lang/RuntimeException", "java/lang/Exception"]
def thWs (q : Nat × Nat × Nat × Nat × Nat) : List Cond := Cond.classLink (clsT.getD q.1 "") q.2.1 (exN q.2.2.2.2) :: Cond.initialized (exN q.2.2.2.2) :: vx_atS (clsT.getD q.1 "") q.2.2.2.1 (exN q.2.2.2.2) thNm
def inT (w : Cond) : Bool := lw_tbl.any (fun x => decide (x = w))
def thIx : List (Nat × Nat) := [(498, 69), (566, 70), (498, 69), (566, 70), (607, 72), (498, 69), (498, 69), (498, 69), (498, 69), (607, 72), (498, 69), (566, 70), (607, 72), (607, 72), (607, 72), (607, 72), (607, 72), (498, 69), (607, 72), (607, 72), (566, 70)]
theorem th_a : (thT.zip thIx).all (fun q => decide (lw_tbl[q.2.1]? = some (Cond.classLink (clsT.getD q.1.1 "") q.1.2.1 (exN q.1.2.2.2.2))) && decide (lw_tbl[q.2.2]? = some (Cond.initialized (exN q.1.2.2.2.2)))) = true := by decide +kernel
theorem th_b : thT.all (fun q => (thWs q).all vx_ot) = true := by decide +kernel
theorem th_c : thT.all (fun q => (thWs q).all goodWord) = true := by decide +kernel
theorem th_d : (thT.take 1).all (fun q => (thWs q).all inT) = true := by decide +kernel
