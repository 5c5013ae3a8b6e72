theorem pf_fm : plainFor yJ9_floorMod_7cf53 = true := by decide +kernel
theorem zz_last : True := trivial
