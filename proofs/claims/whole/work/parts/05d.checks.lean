theorem zk_279_0 : z_chkL (z_meth 279) zc_279_0 = true := by decide +kernel
theorem zk_279_1 : z_chkL (z_meth 279) zc_279_1 = true := by decide +kernel
theorem zk_279_2 : z_chkL (z_meth 279) zc_279_2 = true := by decide +kernel
theorem zk_279_3 : z_chkL (z_meth 279) zc_279_3 = true := by decide +kernel
theorem zk_279_4 : z_chkL (z_meth 279) zc_279_4 = true := by decide +kernel
theorem zk_279_5 : z_chkL (z_meth 279) zc_279_5 = true := by decide +kernel
