/-! part 91: the memory behind the constructors -/
/-- the memory behind the constructors -/
def zf_m0 : zf_Me := (fun c k => match zx_hM[c]? with
  | some (.inl (_, fs)) => (match fs[k]? with
    | some (.inl x) => x
    | _ => 0)
  | some (.inr (0, .inl f)) => f.getD k 0
  | _ => 0, fun _ _ => 0)
def zf_dA : DecidableEq zx_A := inferInstance
def zf_dV : DecidableEq zx_V := inferInstance
def zf_d1 : DecidableEq (Nat × List zx_V) := by
  haveI := zf_dV
  exact inferInstance
def zf_d2 : DecidableEq (Nat × zx_A) := by
  haveI := zf_dA
  exact inferInstance
def zf_dC : DecidableEq zx_C := by
  haveI := zf_d1
  haveI := zf_d2
  exact inferInstance
def zf_dL : DecidableEq (List zx_C) := by
  haveI := zf_dC
  exact inferInstance
set_option maxRecDepth 100000 in
theorem zf_m0_ok : zx_hM = zf_E zf_m0 := by
  have h : (@decide (zx_hM = zf_E zf_m0) (zf_dL zx_hM (zf_E zf_m0))) = true := by decide +kernel
  exact @of_decide_eq_true _ (zf_dL zx_hM (zf_E zf_m0)) h
