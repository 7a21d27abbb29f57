theorem fp_here : True := by have _h := @FP.Core.val64_dmul; exact True.intro
