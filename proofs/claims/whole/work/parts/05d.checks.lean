theorem zk_283_0 : z_chkL (z_meth 283) zc_283_0 = true := by decide +kernel
theorem zk_283_1 : z_chkL (z_meth 283) zc_283_1 = true := by decide +kernel
theorem zk_283_2 : z_chkL (z_meth 283) zc_283_2 = true := by decide +kernel
theorem zk_283_3 : z_chkL (z_meth 283) zc_283_3 = true := by decide +kernel
theorem zk_283_4 : z_chkL (z_meth 283) zc_283_4 = true := by decide +kernel
theorem zk_283_5 : z_chkL (z_meth 283) zc_283_5 = true := by decide +kernel
